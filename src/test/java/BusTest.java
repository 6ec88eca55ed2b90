/** Promise 12: bus. */
public final class BusTest {
    private static final Check check = new Check();

    public static void main(String[] args) {
        CraneSite site = new CraneSite();
        check.refusesArgument("what -1", () -> site.bus(-1));
        check.refusesArgument("what 4", () -> site.bus(4));

        site.share(0, 1000, 1, 0, 5);
        Check.fates(site, 2, 0, 3);
        site.tick(1);
        check.equalRows("ASK is sent", Check.bus(site), Check.row(1, 1, 0, 0));
        site.tick(1);
        check.equalRows("it is on its way", Check.bus(site), Check.row(1, 1, 0, 0));
        site.tick(1);
        check.equalRows("it came, GRANT is lost", Check.bus(site), Check.row(0, 2, 1, 1));
        site.tick(7);
        check.equalRows("BEAT is sent", Check.bus(site), Check.row(1, 3, 1, 1));
        site.tick(3);
        check.equalRows("BEAT came", Check.bus(site), Check.row(0, 3, 1, 2));
        site.tick(987);
        check.equalRows("BEATs, an ASK and a GRANT more", Check.bus(site), Check.row(1, 104, 1, 102));
        check.end();
    }
}
