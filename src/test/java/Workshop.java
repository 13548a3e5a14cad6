/** A text put together LINE by LINE; what isn't told is a rod in which nothing happens to a drill. */
final class Workshop {
    private String rod = "rod inches 5 wall 999 bush 0";
    private String lip = "lip 99 oil 50 room 99 bears 999";
    private String costs = "costs inch 0 lip 0 draw 0";
    private String ways = "";
    private String hards = "";
    private String froms = "";
    private String seers = "";

    Workshop rod(int inches, int wall, int bush) {
        rod = "rod inches " + inches + " wall " + wall + " bush " + bush;
        return this;
    }

    Workshop lip(int lips, int oil, int room, int bears) {
        lip = "lip " + lips + " oil " + oil + " room " + room + " bears " + bears;
        return this;
    }

    Workshop costs(int inch, int lips, int draw) {
        costs = "costs inch " + inch + " lip " + lips + " draw " + draw;
        return this;
    }

    Workshop way(String name, int push, int hold, int force) {
        ways += ";way " + name + " push " + push + " hold " + hold + " force " + force;
        return this;
    }

    Workshop hard(int inch, int by, String side) {
        hards += ";hard " + inch + " by " + by + " " + side;
        return this;
    }

    /** Behind the WAY's name draw and sharpen may stand. */
    Workshop from(int inch, int feed, String wayAndMore) {
        froms += ";from " + inch + " feed " + feed + " way " + wayAndMore;
        return this;
    }

    Workshop seer(String name, int sees) {
        seers += ";seer " + name + " sees " + sees;
        return this;
    }

    String text() {
        return rod + ";" + lip + ";" + costs + (ways.isEmpty() ? ";way a push 0 hold 0 force 1" : ways) + hards
            + (froms.isEmpty() ? ";from 0 feed 1 way a" : froms) + seers;
    }

    DeepHole shop() {
        return Check.shop(text());
    }

    DeepHole drilled(int n) {
        DeepHole x = shop();
        x.drill(n);
        return x;
    }
}
