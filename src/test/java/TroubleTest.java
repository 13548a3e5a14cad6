/** Promise 34: trouble is that of the latest call that may be refused. */
public final class TroubleTest {
    public static void main(String[] args) {
        DeepHole x = Check.shop(Check.BASE);
        neverRefused(x);
        everyGrantClears(x);
        Check.end("TroubleTest");
    }

    private static void neverRefused(DeepHole x) {
        x.shop(-1);
        x.feed(0, 0, 0, 0, 0);
        x.fault();
        x.where();
        x.state(0);
        x.state(99);
        x.feedAt(0);
        x.feedAt(99);
        x.forget();
        x.stroke(0);
        x.clear();
        Check.ledOf(x, 0);
        Check.due("trouble() behind all that is never refused", x.trouble(), 2);
        Check.due("trouble() again", x.trouble(), 2);
        for (int i = 0; i < 36; i++) {
            x.feed(0, 0, 0, 0, 0);
        }
        Check.due("trouble() behind a full tape", x.trouble(), 2);
        x.met(99);
        x.drill(4);
        x.meet();
        x.ring(9);
        Check.ledOf(x, 0);
        Check.due("trouble() behind a led that doesn't throw", x.trouble(), 1);
    }

    private static void everyGrantClears(DeepHole x) {
        int calls = 24;
        for (int call = 0; call < calls; call++) {
            x.shop(-1);
            Check.due("trouble() ahead of call " + call, x.trouble(), 2);
            granted(x, call);
            Check.due("trouble() behind call " + call, x.trouble(), 0);
        }
    }

    private static int granted(DeepHole x, int call) {
        switch (call) {
            case 0: x.shop(0); return Check.told(x, Check.BASE);
            case 1: return x.rod(false) ? 1 : 0;
            case 2: return x.drill(4);
            case 3: return x.inch(0, 0);
            case 4: return x.odds(1, 0);
            case 5: return x.rows(1);
            case 6: return x.cheapest(1, 0);
            case 7: return x.met(1);
            case 8: return x.meet();
            case 9: return x.felt(0, 20);
            case 10: return x.causes();
            case 11: return x.cause(0, 0);
            case 12: return x.sure(0);
            case 13: return x.off(0, true);
            case 14: return x.ring(0);
            case 15: return x.sees(0);
            case 16: return x.blow(1, 0, 1);
            case 17: return x.fewest(1, 99);
            case 18: return x.heat();
            case 19: return x.about();
            case 20: return x.wall(0, 0, 0) ? 1 : 0;
            case 21: return x.lies(0, 0, true);
            case 22: return x.next(0);
            default: return x.sure(2);
        }
    }
}
