/** Promises 18 and 19: streets read from texts, and their faults. */
public final class TownTest {
    private TownTest() {
    }

    public static void main(String[] args) {
        town();
        overWhatThereIs();
        leastNumbers();
        lettersAsInts();
        refused();
        faults();
        faultsOfRoom();
        Due.end();
    }

    private static void town() {
        AStreetByACane x = new AStreetByACane();
        x.sign(0, 0, 1, 0);
        x.show(4, 0);
        x.thing(0, true, 1);
        x.begin(3);
        x.step(false);
        Due.put(x, 0, "hour 3;long 024;sign 6 23 10 255;thing 23 1 010;thing 0 0 1;wander 3 7;arc 9");
        Due.due("town(0)", 7, x.town(0));
        Due.due("fault()", -1, x.fault());
        int[] then = {24, 1, 2, 0, 0, 3, 0, 9};
        for (int what = 0; what < then.length; what++) {
            Due.due("town: status(" + what + ")", then[what], x.status(what));
        }
        int[] sign = {6, 23, 10, 255};
        for (int what = 0; what < 4; what++) {
            Due.due("town: signOf(0, " + what + ")", sign[what], x.signOf(0, what));
        }
        int[] thing = {23, 1, 10};
        for (int what = 0; what < 3; what++) {
            Due.due("town: thingOf(0, " + what + ")", thing[what], x.thingOf(0, what));
        }
        Due.due("town: thingOf(1, 1)", 0, x.thingOf(1, 1));
        Due.due("town: odds", 24, x.odds(-1));
        Due.due("town: a sign's shelf", -1, x.holds(4));
        Due.due("town: right()", -6, x.right());
        Due.due("town: wander as it was", 307, x.wander(1, 1));
    }

    private static void overWhatThereIs() {
        AStreetByACane x = new AStreetByACane();
        x.sign(0, 0, 1, 0);
        x.show(4, 0);
        x.thing(0, true, 1);
        x.begin(3);
        x.lost(3);
        x.step(false);
        Due.put(x, 0, "sign 0 11 5 0;thing 11 1 2");
        Due.due("town without long", 2, x.town(0));
        Due.due("town without long: signs", 2, x.status(1));
        Due.due("town without long: things", 2, x.status(2));
        Due.due("town without long: the shelf", 0, x.holds(4));
        Due.due("town without long: in truth", 3, x.begin(4));
        Due.due("town without long: news", 0, x.status(3));
        Due.due("town without long: steps", 0, x.status(4));
        Due.due("town without long: odds", 12, x.odds(-1));
        Due.put(x, 0, "sign 0 11 5 0;thing 11 1 2;long 12");
        Due.due("town with long at the end", 3, x.town(0));
        Due.due("town with long at the end: signs", 0, x.status(1));
        Due.due("town with long at the end: things", 0, x.status(2));
        Due.due("town with long at the end: the shelf", -1, x.holds(4));
        Due.due("town with long at the end: in truth", -6, x.right());
    }

    private static void leastNumbers() {
        AStreetByACane x = new AStreetByACane();
        x.ask(0, 5);
        Due.put(x, 0, "hour 0;wander 0 0;arc 1;long 2;sign 0 0 1 0;thing 0 0 1");
        Due.due("town of the least numbers", 6, x.town(0));
        Due.due("the least hour", 0, x.status(5));
        Due.due("the least arc", 1, x.status(7));
        Due.due("the least wander", 0, x.wander(1, 1));
        Due.due("the least long", 2, x.status(0));
        Due.due("the least b", 0, x.signOf(0, 3));
        Due.put(x, 0, "wander 10 0;wander 0 10;hour 7");
        Due.due("town of the greatest numbers", 3, x.town(0));
        Due.due("the greatest hour", 7, x.status(5));
        Due.due("the greatest wander", 10, x.wander(1, 1));
    }

    private static void lettersAsInts() {
        AStreetByACane x = new AStreetByACane();
        String text = "arc 7";
        for (int sort = 0; sort < 4; sort++) {
            x.ask(2, 1);
            x.row(0, sort, text.length());
            for (int i = 0; i < text.length(); i++) {
                x.set(0, i, sort == 3 ? text.charAt(i) + (9L << 32) : text.charAt(i));
            }
            Due.due("town of sort " + sort, 1, x.town(0));
            Due.due("town of sort " + sort + ": arc", 7, x.status(7));
        }
        x.set(0, 4, '7' + 256);
        Due.due("town: a letter beyond", -6, x.town(0));
        Due.due("town: its place", 4, x.fault());
    }

    private static void refused() {
        AStreetByACane x = new AStreetByACane();
        x.sign(0, 0, 1, 0);
        x.show(2, 0);
        Due.put(x, 0, "arc 0");
        Due.due("town(0)", -6, x.town(0));
        Due.due("fault()", 4, x.fault());
        Due.refused("town(8)", -1, x, () -> x.town(8));
        Due.refused("town(-1)", -1, x, () -> x.town(-1));
        Due.refused("town of a sign", -2, x, () -> x.town(2));
        Due.refused("town of nothing", -3, x, () -> x.town(3));
        Due.refused("town with the same fault", -6, x, () -> x.town(0));
        x.begin(7);
        x.wander(2, 2);
        Due.put(x, 0, "wander 5 5;hour 2;sign 0 0 1 0;thing 0 0 1;arc 3;long 9;long 1");
        String before = streetOf(x);
        Due.due("town of a fault at the end", -6, x.town(0));
        Due.due("fault() at the end", 61, x.fault());
        Due.same("town: all or nothing", before, streetOf(x));
        Due.due("town: all or nothing: in truth", 7, x.begin(0));
        Due.due("town: all or nothing: wander", 202, x.wander(1, 1));
        Due.put(x, 0, "arc 1");
        x.town(0);
        Due.due("fault() behind a text that stands", -1, x.fault());
    }

    private static String streetOf(AStreetByACane x) {
        StringBuilder seen = new StringBuilder();
        for (int what = 0; what <= 9; what++) {
            seen.append(x.status(what)).append(' ');
        }
        return seen.append(x.odds(-1)).append(' ').append(x.holds(2)).toString();
    }

    /** The fault of a text on a new street. */
    private static void fault(String text, int place) {
        AStreetByACane x = new AStreetByACane();
        faultOn(x, text, place);
    }

    private static void faultOn(AStreetByACane x, String text, int place) {
        Due.put(x, 0, text);
        Due.due("town of \"" + text + "\"", -6, x.town(0));
        Due.due("fault of \"" + text + "\"", place, x.fault());
    }

    private static void faults() {
        fault("", 0);
        fault(" long 8", 0);
        fault("x", 0);
        fault("Long 8", 0);
        fault("l", 1);
        fault("lomg 8", 2);
        fault("long", 4);
        fault("long8", 4);
        fault("long ", 5);
        fault("long  8", 5);
        fault("long -8", 5);
        fault("long 1", 5);
        fault("long 25", 5);
        fault("long 25x", 5);
        fault("long 0120", 8);
        fault("long 1234", 5);
        fault("long 8 ", 6);
        fault("long 8;", 7);
        fault("long 8;;", 7);
        fault("long 8; arc 1", 7);
        fault("long 8 9", 6);
        fault("sign 7", 5);
        fault("sign 6", 6);
        fault("sign 6 12 1 1", 7);
        fault("sign 6 11 0 1", 10);
        fault("sign 6 11 11 1", 10);
        fault("sign 6 11 10 256", 13);
        fault("sign 6 11 10", 12);
        fault("sign 6 11 10;", 12);
        fault("sign 6 11 10 1 1", 14);
        fault("long 5;sign 0 5 1 1", 14);
        fault("thing 12 0 1", 6);
        fault("thing 0 2 1", 8);
        fault("thing 0 1 0", 10);
        fault("thing 0 1 11", 10);
        fault("thing 0 1", 9);
        fault("wander 11 0", 7);
        fault("wander 5 6", 9);
        fault("wander 0 11", 9);
        fault("wander 10 1;x", 10);
        fault("wander 1", 8);
        fault("arc 10", 4);
        fault("arc 0", 4);
        fault("hour 8", 5);
        fault("hour a", 5);
        fault("hour 1,", 6);
        fault("hours 1", 4);
    }

    /** A word that there is no room for: asked as soon as its letters stand whole. */
    private static void faultsOfRoom() {
        AStreetByACane x = new AStreetByACane();
        for (int i = 0; i < 8; i++) {
            x.sign(0, 0, 1, 0);
            x.thing(0, true, 1);
        }
        faultOn(x, "sign", 0);
        faultOn(x, "sig", 3);
        faultOn(x, "sigx", 3);
        faultOn(x, "signx", 0);
        faultOn(x, "arc 1;sign 0 0 1 0", 6);
        faultOn(x, "arc 1;thing 9", 6);
        faultOn(x, "arc 1;thin", 10);
        faultOn(x, "thi g", 3);
        Due.put(x, 0, "long 12;thing 0 0 1;sign 0 0 1 0");
        Due.due("town: long makes room", 3, x.town(0));
        AStreetByACane y = new AStreetByACane();
        Due.put(y, 0, "thing 0 0 1;thing 0 0 1;thing 0 0 1;thing 0 0 1");
        Due.due("town: four things", 4, y.town(0));
        Due.due("town: four more", 4, y.town(0));
        faultOn(y, "thing 0 0 1;arc 1", 0);
        y.clear(0);
        faultOn(y, "thing 0 0 1;thing 0 0 1", 12);
    }
}
