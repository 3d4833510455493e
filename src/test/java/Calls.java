/** The calls by their names, so that a test can go through a table of them. */
final class Calls {
    private Calls() {
    }

    /** Numbers behind those that the call takes are left out of account. */
    static int ask(NearlyBought x, String call, int... a) {
        switch (call) {
            case "write": return x.write(a[0]);
            case "wipe": return x.wipe();
            case "fault": return x.fault();
            case "lay": return x.lay();
            case "person": return x.person(a[0], a[1]);
            case "thing": return x.thing(a[0], a[1]);
            case "nearly": return x.nearly(a[0], a[1], a[2]);
            case "pause": return x.pause(a[0], a[1], a[2]);
            case "fair": return x.fair();
            case "give": return x.give(a[0], a[1], a[2]);
            case "undo": return x.undo();
            case "behind": return x.behind(a[0], a[1]);
            case "goes": return x.goes(a[0]);
            case "never": return x.never();
            case "stop": return x.stop(a[0], a[1], a[2]);
            case "rank": return x.rank(a[0], a[1]);
            case "wanted": return x.wanted(a[0]);
            case "seen": return x.seen(a[0], a[1], a[2]);
            case "forget": return x.forget();
            case "feigned": return x.feigned(a[0]);
            case "counts": return x.counts(a[0], a[1], a[2]);
            case "cheapest": return x.cheapest(a[0], a[1]);
            case "greens": return x.greens(a[0], a[1], a[2]);
            case "keep": return x.keep();
            case "back": return x.back();
            default: return x.count(a[0]);
        }
    }
}
