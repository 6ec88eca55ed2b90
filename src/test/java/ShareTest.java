/** Promise 5: share. */
public final class ShareTest {
    private static final Check check = new Check();

    public static void main(String[] args) {
        arcsLieOnTheRightCranes();
        refuses();
        refusedArcsAreNotKept();
        arcsAreClosedWithoutTheRight();
        check.end();
    }

    private static void arcsLieOnTheRightCranes() {
        int[] keepers = {0, 0, 1};
        int[] askers = {1, 2, 2};
        for (int p = 0; p < 3; p++) {
            CraneSite site = new CraneSite();
            site.setUp(keepers[p], 500);
            site.setUp(askers[p], 900);
            site.share(p, 500, 1, 900, 1);
            for (int other = 0; other < 3; other++) {
                int in = other == p ? 1 : 0;
                check.equal("keeper in arc " + other, site.pair(other, 3), in);
                check.equal("asker in arc " + other, site.pair(other, 4), in);
            }
            for (int crane = 0; crane < 3; crane++) {
                int in = crane == keepers[p] || crane == askers[p] ? 1 : 0;
                check.equal("closed arcs of crane " + crane, site.look(crane, 7), in);
            }
        }
    }

    private static void refuses() {
        CraneSite site = new CraneSite();
        site.share(1, 0, 1, 3599, 3599);
        check.refusesState("a second arc", () -> site.share(1, 5, 5, 5, 5));
        wrongArguments(site, 0);
        wrongArguments(site, 1);
        site.tick(1);
        wrongArguments(site, 0);
        check.refusesState("behind a tick", () -> site.share(0, 5, 5, 5, 5));
        check.refusesState("behind a tick, a second", () -> site.share(1, 5, 5, 5, 5));
    }

    private static void wrongArguments(CraneSite site, int p) {
        check.refusesArgument("pair -1", () -> site.share(-1, 5, 5, 5, 5));
        check.refusesArgument("pair 3", () -> site.share(3, 5, 5, 5, 5));
        check.refusesArgument("keeper from -1", () -> site.share(p, -1, 5, 5, 5));
        check.refusesArgument("keeper from 3600", () -> site.share(p, 3600, 5, 5, 5));
        check.refusesArgument("keeper size 0", () -> site.share(p, 5, 0, 5, 5));
        check.refusesArgument("keeper size 3600", () -> site.share(p, 5, 3600, 5, 5));
        check.refusesArgument("asker from -1", () -> site.share(p, 5, 5, -1, 5));
        check.refusesArgument("asker from 3600", () -> site.share(p, 5, 5, 3600, 5));
        check.refusesArgument("asker size 0", () -> site.share(p, 5, 5, 5, 0));
        check.refusesArgument("asker size 3600", () -> site.share(p, 5, 5, 5, 3600));
    }

    private static void refusedArcsAreNotKept() {
        CraneSite site = new CraneSite();
        check.refusesArgument("asker size 0", () -> site.share(0, 0, 5, 5, 0));
        check.equal("closed arcs", site.look(0, 7), 0);
        site.share(0, 10, 5, 0, 5);
        check.equal("closed arcs of the keeper", site.look(0, 7), 0);
        check.equal("closed arcs of the asker", site.look(1, 7), 1);
    }

    private static void arcsAreClosedWithoutTheRight() {
        CraneSite site = new CraneSite();
        site.share(0, 0, 10, 50, 10);
        check.equal("before a tick", site.look(0, 7), 1);
        site.tick(1);
        check.equal("the keeper took the right", site.pair(0, 0), 1);
        check.equal("so it is not closed", site.look(0, 7), 0);
    }
}
