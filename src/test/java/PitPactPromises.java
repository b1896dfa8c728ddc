/** For each promise: ordinary inputs, the edges that the document names, and wrong inputs. */
public final class PitPactPromises {
    private static int wrong = 0;
    private static int asked = 0;
    private static String promise = "";

    private static void due(String call, int got, int want) {
        asked++;
        if (got != want) {
            wrong++;
            System.out.println(promise + ": " + call + " answered " + got + ", due is " + want);
        }
    }

    /** Says a text sign by sign. */
    private static void sayAll(PitPact x, String text) {
        for (int i = 0; i < text.length(); i++) {
            x.say(text.charAt(i));
        }
    }

    private static int faultOf(String text) {
        PitPact x = new PitPact();
        sayAll(x, text);
        return x.fault();
    }

    private static int ruleOf(PitPact x, int which, String text) {
        x.wipe();
        sayAll(x, text);
        return x.rule(which);
    }

    /** Pits in a row along x, open, 10 apart. */
    private static PitPact withPits(int count) {
        PitPact x = new PitPact();
        for (int i = 0; i < count; i++) {
            x.pit(10 * i, 0, 100, 100, 300);
        }
        return x;
    }

    private static void aNewObject() {
        promise = "1 a new object";
        PitPact x = new PitPact();
        for (int what : new int[] {0, 1, 2, 3, 4, 5, 6, 7, 8, 10, 11, 12, 13, 14}) {
            due("told(" + what + ")", x.told(what), 0);
        }
        int[] first = {60, 30, 0, 0, 8, 3, 10};
        for (int i = 0; i < first.length; i++) {
            due("told(" + (20 + i) + ")", x.told(20 + i), first[i]);
        }
        due("price at first", x.price(2, 4, 5), 100);
        due("lone", x.lone(), 0);
        due("about no pit", x.about(0, 0), PitPact.UNKNOWN);
        due("ofMan no man", x.ofMan(0, 0), PitPact.UNKNOWN);
        due("whose no harm", x.whose(0), PitPact.UNKNOWN);
        x.pit(3, 4, 1, 1, 1);
        x.man(20, 0, 0, 5, 0, false);
        for (int rule = 0; rule < 3; rule++) {
            due("no rule " + rule, x.worth(rule, 0), -2000006);
        }
        ruleOf(x, 0, "f");
        due("towns lie at 0, 0", x.worth(0, 0), 7);
        due("a second object has its own state", new PitPact().told(0), 0);
    }

    private static void town() {
        promise = "2 town";
        PitPact x = withPits(1);
        due("town(5, 99, 0)", x.town(5, 99, 0), 1);
        due("town(0, 0, 99)", x.town(0, 0, 99), 1);
        due("no such", x.town(-1, 0, 0), PitPact.UNKNOWN);
        due("no such, ahead of OUTSIDE", x.town(6, 100, 0), PitPact.UNKNOWN);
        due("x", x.town(0, 100, 0), PitPact.OUTSIDE);
        due("x below", x.town(0, -1, 0), PitPact.OUTSIDE);
        due("y", x.town(0, 0, 100), PitPact.OUTSIDE);
        due("y below", x.town(0, 0, -1), PitPact.OUTSIDE);
        x.man(20, 0, 0, 0, 0, false);
        ruleOf(x, 0, "f");
        due("lies where it was told", x.worth(0, 0), 99);
        x.town(0, 3, 4);
        due("lies anew", x.worth(0, 0), 7);
    }

    private static void pit() {
        promise = "3 pit";
        PitPact x = new PitPact();
        due("least", x.pit(0, 0, 0, 0, 1), 0);
        due("most", x.pit(99, 99, 1000, 200, 1000), 1);
        int[][] outside = {
            {-1, 0, 0, 0, 1}, {100, 0, 0, 0, 1}, {0, -1, 0, 0, 1}, {0, 100, 0, 0, 1}, {0, 0, -1, 0, 1},
            {0, 0, 1001, 0, 1}, {0, 0, 0, -1, 1}, {0, 0, 0, 201, 1}, {0, 0, 0, 0, 0}, {0, 0, 0, 0, 1001},
            {Integer.MIN_VALUE, 0, 0, 0, 1}, {0, 0, 0, 0, Integer.MAX_VALUE}};
        for (int[] o : outside) {
            due("pit" + java.util.Arrays.toString(o), x.pit(o[0], o[1], o[2], o[3], o[4]), PitPact.OUTSIDE);
        }
        due("refused ones are not there", x.told(0), 2);
        for (int i = 2; i < 8; i++) {
            due("number " + i, x.pit(i, i, i, i, i), i);
        }
        due("a ninth", x.pit(1, 1, 1, 1, 1), PitPact.FULL);
        due("OUTSIDE ahead of FULL", x.pit(1, 1, 1, 1, 0), PitPact.OUTSIDE);
    }

    private static void about() {
        promise = "4 about";
        PitPact x = new PitPact();
        x.pit(1, 1, 1, 1, 1);
        x.pit(11, 12, 13, 14, 15);
        x.posts(1, 0, 7);
        x.posts(1, 1, 8);
        x.posts(1, 2, 9);
        x.man(20, 0, 0, 0, 1, false);
        x.man(20, 0, 0, 0, 1, false);
        x.man(20, 0, 0, 0, 0, false);
        int[] want = {11, 12, 13, 14, 15, 1, 2, 0, PitPact.NONE, 1, 7, 8, 9};
        for (int what = 0; what < want.length; what++) {
            due("about(1, " + what + ")", x.about(1, what), want[what]);
        }
        due("what above", x.about(1, 13), PitPact.OUTSIDE);
        due("what below", x.about(1, -1), PitPact.OUTSIDE);
        due("no such", x.about(2, 13), PitPact.UNKNOWN);
        due("no such below", x.about(-1, 0), PitPact.UNKNOWN);
        x.pump(1, false);
        x.inflow(1, 6);
        x.months(3);
        due("LEVEL", x.about(1, 7), 15);
        due("DROWNED", x.about(1, 8), 0);
        due("pump", x.about(1, 9), 0);
        x.close(1);
        due("closed", x.about(1, 5), 0);
        due("its men went", x.about(1, 6), 0);
        due("its posts went", x.about(1, 10) + x.about(1, 11) + x.about(1, 12), 0);
        due("it still lies there", x.about(1, 1), 12);
        due("its water stays", x.about(1, 7), 15);
    }

    private static void man() {
        promise = "5 man";
        PitPact x = withPits(2);
        due("least", x.man(14, 0, 0, 0, 0, false), 0);
        due("most", x.man(70, 2, 50, 5, 1, true), 1);
        due("town", x.man(20, 0, 0, 6, 0, false), PitPact.UNKNOWN);
        due("town below", x.man(20, 0, 0, -1, 0, false), PitPact.UNKNOWN);
        due("pit", x.man(13, 0, 0, 0, 2, false), PitPact.UNKNOWN);
        due("pit below", x.man(20, 0, 0, 0, -1, false), PitPact.UNKNOWN);
        due("age", x.man(13, 0, 0, 0, 0, false), PitPact.OUTSIDE);
        due("age above", x.man(71, 0, 0, 0, 0, false), PitPact.OUTSIDE);
        due("trade", x.man(20, 3, 0, 0, 0, false), PitPact.OUTSIDE);
        due("trade below", x.man(20, -1, 0, 0, 0, false), PitPact.OUTSIDE);
        due("years", x.man(20, 0, 51, 0, 0, false), PitPact.OUTSIDE);
        due("years below", x.man(20, 0, -1, 0, 0, false), PitPact.OUTSIDE);
        due("above PENSION he is at his pit till a year goes by", x.ofMan(1, 6), 0);
        for (int i = 2; i < 24; i++) {
            due("number " + i, x.man(20, 0, 0, 0, 0, false), i);
        }
        due("a 25th", x.man(20, 0, 0, 0, 0, false), PitPact.FULL);
        due("refused ones are not there", x.told(1), 24);
        x.close(1);
        due("STATE ahead of FULL", x.man(20, 0, 0, 0, 1, false), PitPact.STATE);
        due("OUTSIDE ahead of STATE", x.man(13, 0, 0, 0, 1, false), PitPact.OUTSIDE);
    }

    private static void ofMan() {
        promise = "6 ofMan";
        PitPact x = withPits(3);
        x.man(30, 2, 4, 5, 1, true);
        x.man(31, 1, 6, 3, 0, false);
        int[] want = {30, 2, 4, 5, 1, 1, 0};
        for (int what = 0; what < want.length; what++) {
            due("ofMan(0, " + what + ")", x.ofMan(0, what), want[what]);
        }
        due("no kin", x.ofMan(1, 5), 0);
        due("what above", x.ofMan(0, 7), PitPact.OUTSIDE);
        due("what below", x.ofMan(0, -1), PitPact.OUTSIDE);
        due("no such", x.ofMan(2, 7), PitPact.UNKNOWN);
        due("no such below", x.ofMan(-1, 0), PitPact.UNKNOWN);
        x.close(1);
        due("LEFT", x.ofMan(0, 6), 3);
        due("LEFT is at none", x.ofMan(0, 4), PitPact.NONE);
        x.leave(1);
        due("GONE", x.ofMan(1, 6), 4);
        due("GONE is at none", x.ofMan(1, 4), PitPact.NONE);
        due("GONE keeps his home", x.ofMan(1, 3), 3);
    }

    private static void leave() {
        promise = "7 leave";
        PitPact x = withPits(3);
        x.man(30, 0, 0, 0, 0, false);
        x.man(50, 0, 0, 0, 1, true);
        x.man(70, 0, 0, 0, 0, false);
        x.man(30, 0, 0, 0, 1, false);
        ruleOf(x, 0, "k");
        due("one LEFT by closing", x.close(1), 1);
        x.year();
        due("was at a pit", x.leave(0), 0);
        due("was BRIDGED", x.leave(1), 1);
        due("was PENSIONED", x.leave(2), 2);
        due("was LEFT", x.leave(3), 3);
        due("is GONE", x.leave(0), PitPact.NO);
        due("is GONE too", x.leave(2), PitPact.NO);
        due("no such", x.leave(4), PitPact.UNKNOWN);
        due("no such below", x.leave(-1), PitPact.UNKNOWN);
        due("all GONE", x.told(14), 4);
        due("none at the pit", x.about(0, 6), 0);
        due("no post comes free", x.about(0, 10), 0);
    }

    private static void posts() {
        promise = "8 posts";
        PitPact x = withPits(2);
        due("none at first", x.posts(0, 0, 9), 0);
        due("how many there were", x.posts(0, 0, 0), 9);
        due("0 again", x.posts(0, 0, 3), 0);
        due("another trade", x.posts(0, 2, 1), 0);
        due("another pit", x.posts(1, 0, 1), 0);
        due("no such", x.posts(2, 3, 0), PitPact.UNKNOWN);
        due("trade", x.posts(0, 3, 0), PitPact.OUTSIDE);
        due("trade below", x.posts(0, -1, 0), PitPact.OUTSIDE);
        due("n", x.posts(0, 0, 10), PitPact.OUTSIDE);
        due("n below", x.posts(0, 0, -1), PitPact.OUTSIDE);
        due("refused ones change nothing", x.about(0, 10), 3);
        x.close(1);
        due("closed", x.posts(1, 0, 1), PitPact.STATE);
        due("OUTSIDE ahead of STATE", x.posts(1, 0, 10), PitPact.OUTSIDE);
    }

    private static void set() {
        promise = "9 set";
        PitPact x = new PitPact();
        int[] first = {60, 30, 0, 0, 8, 3, 10};
        int[] least = {50, 0, 0, 0, 1, 1, 0};
        int[] most = {70, 200, 10000, 5000, 8, 5, 50};
        for (int i = 0; i < 7; i++) {
            due("below least of " + i, x.set(i, least[i] - 1), PitPact.OUTSIDE);
            due("above most of " + i, x.set(i, most[i] + 1), PitPact.OUTSIDE);
            due("least of " + i, x.set(i, least[i]), first[i]);
            due("most of " + i, x.set(i, most[i]), least[i]);
            due("told of " + i, x.told(20 + i), most[i]);
        }
        due("which above", x.set(7, 1), PitPact.OUTSIDE);
        due("which below", x.set(-1, 1), PitPact.OUTSIDE);
    }

    private static void year() {
        promise = "10 year";
        PitPact x = withPits(2);
        x.man(58, 0, 49, 0, 0, false);
        x.man(59, 0, 50, 0, 0, false);
        x.man(70, 0, 3, 0, 0, false);
        x.man(57, 0, 3, 0, 1, false);
        x.man(69, 0, 3, 0, 0, false);
        x.leave(4);
        x.close(1);
        due("who is PENSION then", x.year(), 2);
        due("a year older", x.ofMan(0, 0), 59);
        due("a year more below", x.ofMan(0, 2), 50);
        due("50 at most", x.ofMan(1, 2), 50);
        due("70 at most", x.ofMan(2, 0), 70);
        due("the last year counts too", x.ofMan(2, 2), 4);
        due("PENSIONED", x.ofMan(1, 6), 2);
        due("PENSIONED are at none", x.ofMan(1, 4), PitPact.NONE);
        due("GONE do not grow older", x.ofMan(4, 0), 69);
        due("GONE are not PENSIONED", x.ofMan(4, 6), 4);
        due("LEFT grow older", x.ofMan(3, 0), 58);
        due("LEFT have no year below", x.ofMan(3, 2), 3);
        due("PENSIONED once", x.year(), 1);
        due("PENSIONED grow older", x.ofMan(1, 0), 61);
        due("LEFT are PENSIONED too", x.year(), 1);
        due("was LEFT", x.ofMan(3, 6), 2);
        x.set(0, 70);
        due("none", x.year(), 0);
        due("PENSIONED stay so", x.told(12), 4);
        bridgedGrowOld();
    }

    private static void bridgedGrowOld() {
        PitPact x = withPits(1);
        x.man(48, 0, 7, 0, 0, true);
        ruleOf(x, 0, "k");
        x.close(0);
        x.set(0, 50);
        due("BRIDGED, too young", x.year(), 0);
        due("BRIDGED have no year below", x.ofMan(0, 2), 7);
        due("BRIDGED still", x.ofMan(0, 6), 1);
        due("BRIDGED are PENSIONED", x.year(), 1);
        due("then", x.ofMan(0, 6), 2);
        due("nobody", new PitPact().year(), 0);
    }

    private static void say() {
        promise = "11 say";
        PitPact x = new PitPact();
        due("first", x.say(33), 1);
        due("last", x.say(126), 2);
        due("below", x.say(32), PitPact.OUTSIDE);
        due("above", x.say(127), PitPact.OUTSIDE);
        for (int i = 3; i <= 40; i++) {
            due("sign " + i, x.say('z'), i);
        }
        due("a 41st", x.say('a'), PitPact.FULL);
        due("OUTSIDE ahead of FULL", x.say(0), PitPact.OUTSIDE);
        due("refused ones are not there", x.told(2), 40);
    }

    private static void wipe() {
        promise = "12 wipe";
        PitPact x = new PitPact();
        due("none", x.wipe(), 0);
        sayAll(x, "bbb");
        due("three", x.wipe(), 3);
        due("they went", x.wipe(), 0);
        due("from the first on", x.say('a'), 1);
        due("nothing of them is left", x.fault(), PitPact.NONE);
    }

    private static void fault() {
        promise = "13 fault";
        String[] good = {"a", "y", "t", "k", "f", "0,", "9999,", "ay+", "ay-", "ay*", "ay<", "ay>", "ay=", "ay&",
            "ay|", "a!", "a!!!!", "aytkf++++", "a1,2,3,4,++++", "0007,a=", "aytk1,++++"};
        for (String text : good) {
            due(text, faultOf(text), PitPact.NONE);
        }
        due("empty", faultOf(""), 0);
        due("two are left", faultOf("ay"), 2);
        due("five are left", faultOf("aytkf"), 5);
        due("ends early", faultOf("a12"), 3);
        due("ends early as the only one", faultOf("1234"), 4);
        due("too few for !", faultOf("!"), 0);
        due("too few for +", faultOf("a+"), 1);
        due("too few later", faultOf("ay++"), 3);
        for (char act : "+-*<>=&|".toCharArray()) {
            due("none for " + act, faultOf("" + act), 0);
            due("one for " + act, faultOf("a!" + act + "a"), 2);
        }
        due("a sixth", faultOf("aytkfa"), 5);
        due("a sixth, a number, by its first digit", faultOf("aytkf12,"), 5);
        due("a sixth behind a number", faultOf("aytk0,9"), 6);
        due("a sixth, all numbers", faultOf("1,2,3,4,5,6,"), 10);
        due("a sixth, ahead of a fifth digit", faultOf("aytkf12345,"), 5);
        due("a sixth, ahead of what does not end it", faultOf("aytkf1a"), 5);
        due("a fifth that ends early", faultOf("aytk9"), 5);
        due("a fifth, then room again", faultOf("aytk1,+2,++++"), PitPact.NONE);
        due("an act on a full pile", faultOf("aytkf!"), 6);
        due("a comma on a full pile", faultOf("aytkf,"), 5);
        due("a fifth digit", faultOf("a12345,"), 5);
        due("not ended by a comma", faultOf("12a,"), 2);
        due("not ended by a comma but an act", faultOf("ay12+"), 4);
        due("no number ahead of a comma", faultOf("a,"), 1);
        due("a second comma", faultOf("1,,"), 2);
        for (char other : "bcAY/%.\"#$'()~{}^_`@?;:".toCharArray()) {
            due("no such sign " + other, faultOf("a" + other + "a"), 1);
        }
        due("the first of two", faultOf("a+b"), 1);
        due("40 signs", faultOf("a!!!!!!!!!!!!!!!!!!!!!!!!!!!!!!!!!!!!!!!"), PitPact.NONE);
    }

    private static void rule() {
        promise = "14 rule";
        PitPact x = withPits(1);
        x.man(20, 1, 3, 0, 0, true);
        due("nothing said", x.rule(0), PitPact.NO);
        sayAll(x, "a+");
        due("a fault", x.rule(0), PitPact.NO);
        due("signs stay then", x.told(2), 2);
        due("OUTSIDE ahead of NO", x.rule(3), PitPact.OUTSIDE);
        due("below", x.rule(-1), PitPact.OUTSIDE);
        due("a new one", ruleOf(x, 0, "a"), 1);
        due("signs are empty then", x.told(2), 0);
        due("another new one", ruleOf(x, 2, "y"), 1);
        due("there was one", ruleOf(x, 0, "a1,+"), 0);
        due("the new one counts", x.worth(0, 0), 21);
        due("the other stays", x.worth(2, 0), 3);
        due("none between", x.worth(1, 0), -2000006);
        sayAll(x, "b");
        due("refused", x.rule(0), PitPact.NO);
        due("refused ones change nothing", x.worth(0, 0), 21);
        x.wipe();
        due("wiped signs are no part of it", ruleOf(x, 1, "t"), 1);
        due("so", x.worth(1, 0), 1);
    }

    private static void worth() {
        promise = "15 worth";
        PitPact x = new PitPact();
        x.pit(50, 20, 1, 1, 1);
        x.town(2, 40, 50);
        x.man(44, 2, 17, 2, 0, true);
        x.man(20, 1, 0, 2, 0, false);
        worthIs(x, "a", 44);
        worthIs(x, "y", 17);
        worthIs(x, "t", 2);
        worthIs(x, "k", 1);
        worthIs(x, "f", 40);
        worthIs(x, "0012,", 12);
        worthIs(x, "a7,+", 51);
        worthIs(x, "7,a-", -37);
        worthIs(x, "a7,*", 308);
        worthIs(x, "7,a<", 1);
        worthIs(x, "a7,<", 0);
        worthIs(x, "a44,<", 0);
        worthIs(x, "a7,>", 1);
        worthIs(x, "7,a>", 0);
        worthIs(x, "a44,>", 0);
        worthIs(x, "a44,=", 1);
        worthIs(x, "a43,=", 0);
        worthIs(x, "a7,&", 1);
        worthIs(x, "a0,&", 0);
        worthIs(x, "0,a&", 0);
        worthIs(x, "a0,|", 1);
        worthIs(x, "0,a|", 1);
        worthIs(x, "0,0,|", 0);
        worthIs(x, "a!", 0);
        worthIs(x, "0,!", 1);
        worthIs(x, "0,1,-!", 0);
        worthIs(x, "0,1,-0,|", 1);
        worthIs(x, "aytkf++++", 104);
        worthIs(x, "aytkf----", 44 - (17 - (2 - (1 - 40))));
        worthIs(x, "9999,9999,*9,-", 999991);
        worthIs(x, "0,9999,9999,*-9999,-", -1000000);
        worthIs(x, "9999,9999,*9999,9999,**", 1000000);
        worthIs(x, "0,9999,9999,*-9999,9999,**", -1000000);
        due("no kin", withKin(x), 0);
        due("no such man, ahead of the rule", x.worth(3, 2), -2000001);
        due("no such man below", x.worth(0, -1), -2000001);
        due("rule", x.worth(3, 0), -2000002);
        due("rule below", x.worth(-1, 0), -2000002);
        due("none", x.worth(1, 0), -2000006);
        ruleOf(x, 0, "f");
        x.leave(0);
        due("at none it is not far", x.worth(0, 0), 0);
        due("the other is still there", x.worth(0, 1), 40);
    }

    private static int withKin(PitPact x) {
        ruleOf(x, 0, "k");
        return x.worth(0, 1);
    }

    private static void worthIs(PitPact x, String text, int want) {
        ruleOf(x, 0, text);
        due(text, x.worth(0, 0), want);
    }

    private static void move() {
        promise = "16 move";
        moveOrder();
        moveRefused();
        moveSlots();
        moveFar();
        PitPact x = withPits(1);
        due("no men", x.move(0, -1) + x.move(0, -2) + x.move(0, -3) + x.move(0, -4), 0);
    }

    private static void moveOrder() {
        PitPact x = withPits(4);
        x.man(20, 1, 0, 0, 0, false);
        x.man(20, 1, 0, 0, 0, false);
        x.posts(2, 1, 1);
        x.posts(1, 1, 1);
        due("the first man has the first slot", x.move(0, 0), 1);
        due("the second the other", x.move(0, 1), 2);
        due("sum", x.move(0, -3), 30);
        x.posts(3, 1, 1);
        due("a farther slot is not taken", x.move(0, -3), 30);
        x.posts(1, 1, 0);
        due("then it is", x.move(0, -3), 50);
        x.posts(2, 1, 0);
        due("one is LEFT", x.move(0, -1), 1);
        due("the first goes", x.move(0, 0), 3);
        due("none last", x.move(0, 1), PitPact.NONE);
        x.posts(3, 1, 0);
        x.posts(3, 0, 9);
        due("posts of another trade", x.move(0, -1), 2);
        x.posts(0, 1, 9);
        due("its own posts", x.move(0, -1), 2);
        due("nothing was changed", x.told(10), 2);
        due("no post was taken", x.about(3, 10), 9);
    }

    private static void moveRefused() {
        PitPact x = withPits(2);
        for (int i = 0; i < 10; i++) {
            x.man(20 + i, 0, 0, 0, 0, false);
        }
        x.man(20, 0, 0, 0, 1, false);
        due("ten are not BRIDGED", x.move(0, -1), PitPact.NO);
        due("ten, asked for a man", x.move(0, 3), PitPact.NO);
        due("UNKNOWN ahead of NO", x.move(0, 10), PitPact.UNKNOWN);
        due("no such man", x.move(0, 11), PitPact.UNKNOWN);
        due("man 0 is at the other", x.move(1, 0), PitPact.UNKNOWN);
        due("below -4", x.move(1, -5), PitPact.UNKNOWN);
        due("no such pit", x.move(2, -1), PitPact.UNKNOWN);
        due("no such pit below", x.move(-1, -1), PitPact.UNKNOWN);
        ruleOf(x, 0, "a28,>");
        due("nine are not BRIDGED", x.move(0, -1), 9);
        due("one is", x.move(0, -4), 1);
        due("he goes nowhere", x.move(0, 9), PitPact.NONE);
        x.close(1);
        due("closed", x.move(1, -1), PitPact.STATE);
        due("nobody is at a closed one", x.move(1, 10), PitPact.UNKNOWN);
    }

    private static void moveSlots() {
        PitPact x = withPits(4);
        x.man(20, 2, 0, 0, 3, false);
        x.posts(0, 0, 9);
        x.posts(1, 1, 2);
        x.posts(2, 2, 1);
        due("the twelfth slot counts", x.move(3, 0), 2);
        x.posts(1, 1, 3);
        due("the thirteenth does not", x.move(3, 0), PitPact.NONE);
        x.posts(0, 2, 1);
        due("trades behind pits", x.move(3, 0), 0);
        x.close(0);
        due("posts of closed ones are none", x.move(3, 0), 2);
    }

    private static void moveFar() {
        PitPact x = new PitPact();
        x.pit(0, 0, 1, 1, 1);
        x.pit(31, 0, 1, 1, 1);
        x.pit(30, 0, 1, 1, 1);
        x.pit(99, 99, 1, 1, 1);
        x.man(20, 0, 0, 0, 0, true);
        x.posts(1, 0, 1);
        due("31 is FAR", x.move(0, -2), 1);
        due("it goes all the same", x.move(0, 0), 1);
        ruleOf(x, 1, "k");
        due("who may not is LEFT", x.move(0, -1), 1);
        due("nobody is FAR then", x.move(0, -2), 0);
        x.posts(2, 0, 1);
        due("30 is not FAR", x.move(0, 0), 2);
        x.set(1, 31);
        due("31 is NEAR then, 30 is nearer", x.move(0, 0), 2);
        fewFarAheadOfShort();
    }

    private static void fewFarAheadOfShort() {
        PitPact x = new PitPact();
        x.pit(0, 0, 1, 1, 1);
        x.pit(40, 0, 1, 1, 1);
        x.pit(30, 0, 1, 1, 1);
        x.town(1, 60, 0);
        x.man(20, 0, 0, 1, 0, false);
        x.man(20, 0, 0, 0, 0, false);
        x.posts(1, 0, 1);
        x.posts(2, 0, 1);
        due("both NEAR", x.move(0, -2), 0);
        due("first", x.move(0, 0), 1);
        due("second", x.move(0, 1), 2);
        x.posts(2, 0, 0);
        due("the one that is not FAR goes", x.move(0, 0), 1);
        x.town(1, 80, 0);
        x.set(1, 35);
        x.posts(2, 0, 1);
        due("one FAR rather than two", x.move(0, -2), 1);
        due("with this sum", x.move(0, -3), 70);
    }

    private static void close() {
        promise = "17 close";
        PitPact x = withPits(3);
        x.man(20, 1, 0, 0, 0, false);
        x.man(20, 1, 0, 0, 0, false);
        x.man(56, 1, 0, 0, 0, false);
        x.man(20, 2, 0, 0, 0, false);
        x.man(20, 2, 0, 0, 1, false);
        x.posts(0, 2, 4);
        x.posts(1, 1, 3);
        x.posts(2, 2, 0);
        ruleOf(x, 0, "a55,>");
        due("one is LEFT", x.close(0), 1);
        due("closed", x.close(0), PitPact.STATE);
        due("moved", x.ofMan(0, 4), 1);
        due("is at a pit", x.ofMan(0, 6), 0);
        due("moved too", x.ofMan(1, 4), 1);
        due("BRIDGED", x.ofMan(2, 6), 1);
        due("BRIDGED are at none", x.ofMan(2, 4), PitPact.NONE);
        due("LEFT", x.ofMan(3, 6), 3);
        due("LEFT are at none", x.ofMan(3, 4), PitPact.NONE);
        due("another's man stays", x.ofMan(4, 4), 1);
        due("posts are fewer by two", x.about(1, 11), 1);
        due("its posts go", x.about(0, 12), 0);
        due("open ones", x.told(8), 6);
        due("no such", x.close(3), PitPact.UNKNOWN);
        due("no such below", x.close(-1), PitPact.UNKNOWN);
        PitPact y = withPits(1);
        for (int i = 0; i < 10; i++) {
            y.man(20, 0, 0, 0, 0, false);
        }
        due("ten", y.close(0), PitPact.NO);
        due("it stays open", y.told(8), 1);
        due("they stay", y.about(0, 6), 10);
        y.leave(4);
        due("nine", y.close(0), 9);
    }

    private static void inflow() {
        promise = "18 inflow";
        PitPact x = withPits(1);
        due("0 at first", x.inflow(0, 100), 0);
        due("which it was", x.inflow(0, 0), 100);
        due("above", x.inflow(0, 101), PitPact.OUTSIDE);
        due("below", x.inflow(0, -1), PitPact.OUTSIDE);
        due("no such", x.inflow(1, 101), PitPact.UNKNOWN);
        due("no such below", x.inflow(-1, 1), PitPact.UNKNOWN);
        due("refused ones change nothing", x.inflow(0, 7), 0);
        x.close(0);
        due("closed ones have it too", x.inflow(0, 8), 7);
    }

    private static void pump() {
        promise = "19 pump";
        PitPact x = withPits(2);
        due("runs at first", x.pump(0, true), 1);
        due("ran still", x.pump(0, false), 1);
        due("ran not", x.pump(0, false), 0);
        due("ran not yet", x.pump(0, true), 0);
        due("runs", x.about(0, 9), 1);
        due("another one runs", x.pump(1, false), 1);
        due("no such", x.pump(2, true), PitPact.UNKNOWN);
        due("no such below", x.pump(-1, true), PitPact.UNKNOWN);
    }

    private static void way() {
        promise = "20 way";
        PitPact x = withPits(2);
        due("lowest", x.way(0, 1, 0), 0);
        due("highest", x.way(1, 0, 1000), 1);
        due("both are one", x.way(1, 1, 1001), PitPact.UNKNOWN);
        due("no such a", x.way(2, 0, 0), PitPact.UNKNOWN);
        due("no such b", x.way(0, 2, 0), PitPact.UNKNOWN);
        due("below a", x.way(-1, 0, 0), PitPact.UNKNOWN);
        due("below b", x.way(0, -1, 0), PitPact.UNKNOWN);
        due("above", x.way(0, 1, 1001), PitPact.OUTSIDE);
        due("below", x.way(0, 1, -1), PitPact.OUTSIDE);
        for (int i = 2; i < 12; i++) {
            due("number " + i, x.way(0, 1, i), i);
        }
        due("a 13th", x.way(0, 1, 0), PitPact.FULL);
        due("OUTSIDE ahead of FULL", x.way(0, 1, 1001), PitPact.OUTSIDE);
        due("told", x.told(3), 12);
    }

    private static void months() {
        promise = "21 months";
        PitPact x = withPits(2);
        due("below", x.months(0), PitPact.OUTSIDE);
        due("above", x.months(241), PitPact.OUTSIDE);
        due("most", x.months(240), 0);
        x.inflow(0, 50);
        x.months(2);
        due("all is PUMPED", x.told(6), 100);
        due("LEVEL", x.about(0, 7), 0);
        x.pump(0, false);
        due("a third is not above it", x.months(2), 0);
        due("100 of 300", x.about(0, 7), 100);
        due("above a third", x.months(1), 1);
        due("that MONTH", x.about(0, 8), 244);
        due("the first alone", x.months(1), 0);
        due("marked still", x.about(0, 8), 244);
        due("up to DEPTH", x.months(3), 0);
        due("DEPTH", x.about(0, 7), 300);
        due("what is above", x.told(7), 50);
        x.pump(0, true);
        x.months(1);
        due("PUMPED with its LEVEL", x.told(6), 450);
        due("marked for good", x.about(0, 8), 244);
        x.pump(0, false);
        due("it DROWNS once", x.months(9), 0);
        due("months", x.told(5), 259);
        waysRun();
        waysInOrder();
    }

    private static void waysRun() {
        PitPact x = withPits(2);
        x.way(0, 1, 10);
        x.pump(0, false);
        x.pump(1, false);
        x.inflow(1, 10);
        x.months(1);
        due("at the height nothing runs", x.about(0, 7), 0);
        x.inflow(1, 5);
        x.months(1);
        due("half of 5, cut, runs", x.about(0, 7), 2);
        due("the rest stays", x.about(1, 7), 13);
        x.inflow(1, 0);
        x.inflow(0, 40);
        x.months(1);
        due("half of what is above the other's LEVEL", x.about(1, 7), 13 + 14);
        due("it is lower by that", x.about(0, 7), 42 - 14);
        x.inflow(0, 0);
        x.months(1);
        due("half of one is none", x.about(0, 7), 28);
    }

    private static void waysInOrder() {
        PitPact x = withPits(3);
        x.way(1, 2, 0);
        x.way(0, 1, 0);
        x.pump(0, false);
        x.pump(1, false);
        x.pump(2, false);
        x.inflow(0, 80);
        x.months(1);
        due("the second way fills 1", x.about(1, 7), 40);
        due("the first one was ahead of it", x.about(2, 7), 0);
        x.inflow(0, 0);
        x.months(1);
        due("by LEVELS as they are by then", x.about(0, 7), 30);
        due("of 1", x.about(1, 7), 30);
        due("of 2", x.about(2, 7), 20);
        x.pump(1, true);
        x.inflow(0, 100);
        x.months(1);
        due("what ran to a pump is PUMPED", x.told(6), 77);
        due("0 behind it", x.about(1, 7), 0);
    }

    private static void threat() {
        promise = "22 threat";
        PitPact x = withPits(3);
        x.inflow(0, 100);
        due("its own pump", x.threat(0, 0), 1);
        due("another one's", x.threat(0, 1), PitPact.NONE);
        x.way(0, 1, 20);
        x.pump(1, false);
        due("its own, with a way to 1", x.threat(0, 0), 2);
        due("1 by the pump of 0", x.threat(1, 0), 2);
        due("a pump that does not run", x.threat(1, 1), PitPact.NONE);
        due("nothing went by", x.told(5), 0);
        due("nothing was changed", x.about(0, 9), 1);
        due("no level", x.about(1, 7), 0);
        due("nothing PUMPED", x.told(6), 0);
        due("no such", x.threat(3, 0), PitPact.UNKNOWN);
        due("no such stopped", x.threat(0, 3), PitPact.UNKNOWN);
        due("below", x.threat(-1, 0), PitPact.UNKNOWN);
        due("stopped below", x.threat(0, -1), PitPact.UNKNOWN);
        x.months(3);
        due("from now on", x.threat(1, 0), 1);
        x.pump(0, false);
        due("it does not run already", x.threat(1, 0), 1);
        x.months(2);
        due("it did", x.about(1, 8), 4);
        due("so none", x.threat(1, 0), PitPact.NONE);
        PitPact y = new PitPact();
        y.pit(0, 0, 1, 1, 719);
        y.pit(0, 0, 1, 1, 720);
        y.inflow(0, 1);
        y.inflow(1, 1);
        due("the last of 240", y.threat(0, 0), 239);
        due("not within 240", y.threat(1, 1), PitPact.NONE);
    }

    private static void price() {
        promise = "23 price";
        PitPact x = new PitPact();
        for (int row = 0; row < 3; row++) {
            for (int year = 0; year < 5; year++) {
                due("at first", x.price(row, year, 10 * row + year), 100);
            }
        }
        for (int row = 0; row < 3; row++) {
            for (int year = 0; year < 5; year++) {
                due("which it was", x.price(row, year, 200), 10 * row + year);
            }
        }
        due("row", x.price(3, 0, 201), PitPact.UNKNOWN);
        due("row below", x.price(-1, 0, 1), PitPact.UNKNOWN);
        due("year", x.price(0, 5, 201), PitPact.UNKNOWN);
        due("year below", x.price(0, -1, 1), PitPact.UNKNOWN);
        due("above", x.price(0, 0, 201), PitPact.OUTSIDE);
        due("below", x.price(0, 0, -1), PitPact.OUTSIDE);
        due("refused ones change nothing", x.price(0, 0, 0), 200);
    }

    private static void plan() {
        promise = "24 plan";
        PitPact x = new PitPact();
        x.pit(0, 0, 100, 150, 1);
        x.pit(0, 0, 50, 110, 1);
        x.pit(0, 0, 10, 90, 1);
        due("all open", x.plan(555, 1), 3 * (5000 + 500));
        due("the first ROW", x.plan(555, 2), 0);
        x.price(1, 2, 80);
        due("another WORST", x.plan(555, 1), 3 * 5500 + 2000 + 1000 + 100);
        due("its ROW", x.plan(555, 2), 1);
        due("closed from 1 on", x.plan(155, 1), 5000 + 3 * 500 + 1000 + 100);
        due("from 2 on", x.plan(525, 1), 3 * 5000 + 2000 + 2 * 500 + 100);
        due("3 is behind three years", x.plan(333, 1), x.plan(555, 1));
        x.set(2, 700);
        due("BURDEN in each year", x.plan(155, 1), 5000 + 2 * 700 + 3 * 500 + 1000 + 100);
        due("all closed", x.plan(0, 1), 9 * 700);
        due("alike by all ROWS", x.plan(0, 2), 0);
        x.set(3, 150);
        due("OWED is won", x.plan(553, 0), 1);
        due("just so", x.plan(550, 0), 1);
        due("not any more", x.plan(505, 0), 0);
        due("in the last year", x.plan(255, 0), 0);
        due("behind them", x.plan(333, 0), 1);
        x.set(3, 0);
        x.set(4, 2);
        due("three at once", x.plan(111, 0), 0);
        due("two at once", x.plan(110, 0), 1);
        due("three at once behind the years", x.plan(333, 0), 1);
        x.set(5, 4);
        due("not behind them any more", x.plan(333, 0), 0);
        planRefused(x);
    }

    private static void planRefused(PitPact x) {
        due("a digit above 5", x.plan(556, 0), PitPact.OUTSIDE);
        due("a digit above 5 ahead", x.plan(655, 0), PitPact.OUTSIDE);
        due("too many digits", x.plan(1000, 0), PitPact.OUTSIDE);
        due("below", x.plan(-1, 0), PitPact.OUTSIDE);
        due("far below", x.plan(-1000, 0), PitPact.OUTSIDE);
        due("the lowest", x.plan(Integer.MIN_VALUE, 0), PitPact.OUTSIDE);
        due("the highest", x.plan(Integer.MAX_VALUE, 0), PitPact.OUTSIDE);
        due("what", x.plan(0, 3), PitPact.OUTSIDE);
        due("what below", x.plan(0, -1), PitPact.OUTSIDE);
        x.close(1);
        due("closed now", x.plan(555, 0), PitPact.OUTSIDE);
        x.set(4, 1);
        due("those closed now do not count", x.plan(5, 0), 1);
        x.set(5, 3);
        due("they cost BURDEN", x.plan(505, 1), 3 * 5000 + 2000 + 100 + 3 * 700);
        x.set(3, 111);
        due("they win nothing", x.plan(505, 0), 0);
        x.set(3, 110);
        due("the others do", x.plan(505, 0), 1);
        due("no pits: one plan", new PitPact().plan(0, 0), 1);
        due("it costs nothing", new PitPact().plan(0, 1), 0);
        due("no pits: no digits", new PitPact().plan(5, 0), PitPact.OUTSIDE);
    }

    private static void best() {
        promise = "25 best";
        PitPact x = new PitPact();
        due("no pits", x.best(0), 0);
        due("it costs nothing", x.best(1), 0);
        x.set(3, 1);
        due("no pits, OWED", x.best(0), PitPact.NO);
        due("what ahead of NO", x.best(2), PitPact.OUTSIDE);
        due("what below", x.best(-1), PitPact.OUTSIDE);
        x.pit(0, 0, 100, 150, 1);
        x.pit(0, 0, 100, 150, 1);
        x.pit(0, 0, 100, 120, 1);
        x.set(3, 100);
        due("the cheapest one stays", x.best(0), 3);
        due("its WORST", x.best(1), 6000);
        x.set(3, 200);
        due("of several the first", x.best(0), 33);
        x.set(2, 1000);
        due("with BURDEN", x.best(1), 3 * (5000 + 2000 + 1000));
        x.set(2, 10000);
        due("none is closed", x.best(0), 333);
        x.set(3, 301);
        due("none is KEPT", x.best(1), PitPact.NO);
        x.set(3, 0);
        x.set(2, 0);
        x.set(4, 1);
        due("one a year", x.best(0), 12);
        x.set(5, 1);
        due("one year", x.best(0), 11);
        worstOfRows();
    }

    private static void worstOfRows() {
        PitPact x = new PitPact();
        x.pit(0, 0, 10, 100, 1);
        x.pit(0, 0, 10, 100, 1);
        x.set(5, 2);
        x.set(3, 10);
        x.price(0, 0, 0);
        x.price(1, 1, 0);
        x.price(2, 0, 40);
        due("WORST decides", x.best(1), 1000);
        due("the plan", x.best(0), 2);
        x.set(2, 600);
        due("no dearer", x.best(1), x.plan(x.best(0), 1));
        x.close(0);
        due("closed now", x.best(0), 2);
        due("with its BURDEN", x.best(1), 2 * 600 + 1000);
        PitPact z = new PitPact();
        z.pit(0, 0, 1, 101, 1);
        z.set(5, 1);
        z.set(2, 2);
        due("better by 1 is better", z.best(0), 1);
        z.set(2, 1);
        due("no better: the first", z.best(0), 0);
        PitPact y = withPits(8);
        y.set(5, 5);
        y.set(3, 800);
        due("eight, none may close", y.best(0), 55555555);
    }

    private static void vote() {
        promise = "26 vote";
        PitPact x = withPits(2);
        due("nobody there", x.vote(0, 1), 0);
        x.man(20, 0, 0, 0, 0, true);
        x.man(20, 1, 0, 0, 0, false);
        x.man(20, 2, 0, 0, 1, true);
        due("no rule: nobody", x.vote(0, 0), 0);
        ruleOf(x, 2, "k");
        due("one", x.vote(0, 0), 1);
        due("half is not more than half", x.vote(0, 1), 0);
        ruleOf(x, 2, "0,1,-");
        due("all that is not 0 is true", x.vote(0, 0), 2);
        due("for closing", x.vote(0, 1), 1);
        x.leave(1);
        ruleOf(x, 2, "k");
        due("GONE have no vote", x.vote(0, 1), 1);
        due("no such", x.vote(2, 2), PitPact.UNKNOWN);
        due("no such below", x.vote(-1, 0), PitPact.UNKNOWN);
        due("what", x.vote(0, 2), PitPact.OUTSIDE);
        due("what below", x.vote(0, -1), PitPact.OUTSIDE);
        x.close(0);
        due("closed", x.vote(0, 0), PitPact.STATE);
        due("OUTSIDE ahead of STATE", x.vote(0, 2), PitPact.OUTSIDE);
    }

    private static void worked() {
        promise = "27 worked";
        PitPact x = withPits(1);
        x.harm(0, 0, 40, 5);
        due("whole time", x.worked(0, 0, 99), 1);
        due("one year", x.worked(0, 40, 40), 1);
        due("it counts", x.whose(0), 1);
        due("later", x.worked(0, 41, 99), 1);
        due("later does not", x.whose(0), 0);
        due("from above till", x.worked(0, 41, 40), PitPact.OUTSIDE);
        due("from below", x.worked(0, -1, 40), PitPact.OUTSIDE);
        due("from above", x.worked(0, 100, 100), PitPact.OUTSIDE);
        due("till above", x.worked(0, 0, 100), PitPact.OUTSIDE);
        due("till below", x.worked(0, 0, -1), PitPact.OUTSIDE);
        due("no such", x.worked(1, 5, 4), PitPact.UNKNOWN);
        due("no such below", x.worked(-1, 4, 5), PitPact.UNKNOWN);
        due("refused ones change nothing", x.whose(0), 0);
    }

    private static void harm() {
        promise = "28 harm";
        PitPact x = withPits(1);
        due("least", x.harm(0, 0, 0, 0), 0);
        due("most", x.harm(99, 99, 99, 100000), 1);
        int[][] outside = {{-1, 0, 0, 0}, {100, 0, 0, 0}, {0, -1, 0, 0}, {0, 100, 0, 0}, {0, 0, -1, 0},
            {0, 0, 100, 0}, {0, 0, 0, -1}, {0, 0, 0, 100001}};
        for (int[] o : outside) {
            due("harm" + java.util.Arrays.toString(o), x.harm(o[0], o[1], o[2], o[3]), PitPact.OUTSIDE);
        }
        for (int i = 2; i < 10; i++) {
            due("number " + i, x.harm(1, 1, 1, 1), i);
        }
        due("an eleventh", x.harm(1, 1, 1, 1), PitPact.FULL);
        due("OUTSIDE ahead of FULL", x.harm(1, 1, 100, 1), PitPact.OUTSIDE);
        due("told", x.told(4), 10);
    }

    private static void whose() {
        promise = "29 whose";
        PitPact x = new PitPact();
        x.pit(10, 10, 1, 1, 89);
        x.pit(10, 10, 1, 1, 90);
        x.pit(10, 10, 1, 1, 29);
        x.harm(11, 12, 20, 1);
        x.harm(12, 10, 20, 1);
        x.harm(10, 10, 20, 1);
        due("3 away, a thirtieth is cut", x.whose(0), 2);
        due("2 away", x.whose(1), 3);
        due("at the place", x.whose(2), 7);
        x.worked(1, 0, 10);
        due("ten years ahead of it", x.whose(0), 2);
        x.worked(1, 0, 9);
        due("eleven", x.whose(0), 0);
        x.set(6, 11);
        due("by SPAN", x.whose(0), 2);
        x.worked(1, 20, 30);
        due("in that year", x.whose(0), 2);
        x.worked(1, 21, 30);
        due("behind it", x.whose(0), 0);
        x.set(6, 50);
        x.worked(1, 0, 0);
        due("years ahead of the first", x.whose(0), 2);
        x.close(1);
        due("closed ones too", x.whose(0), 2);
        due("no such", x.whose(3), PitPact.UNKNOWN);
        due("no such below", x.whose(-1), PitPact.UNKNOWN);
    }

    private static void part() {
        promise = "30 part";
        PitPact x = new PitPact();
        x.pit(50, 50, 9, 1, 1);
        x.pit(0, 0, 0, 1, 1);
        x.pit(0, 0, 1, 1, 1);
        x.pit(0, 0, 3, 1, 1);
        x.harm(0, 0, 0, 20);
        x.harm(99, 99, 0, 20);
        due("none of it", x.part(0, 0), 0);
        due("2 and what is left over", x.part(0, 1), 4);
        due("a weight of 2", x.part(0, 2), 5);
        due("a weight of 4", x.part(0, 3), 11);
        due("nobody's", x.part(1, 1), 0);
        due("no such harm", x.part(2, 0), PitPact.UNKNOWN);
        due("no such pit", x.part(0, 4), PitPact.UNKNOWN);
        due("harm below", x.part(-1, 0), PitPact.UNKNOWN);
        due("pit below", x.part(0, -1), PitPact.UNKNOWN);
        PitPact y = new PitPact();
        for (int i = 0; i < 8; i++) {
            y.pit(0, 0, 1000, 1, 1);
        }
        y.harm(0, 0, 0, 99999);
        due("the first of eight", y.part(0, 0), 12499 + 7);
        due("the last of eight", y.part(0, 7), 12499);
    }

    private static void work() {
        promise = "31 work";
        PitPact x = withPits(3);
        x.man(20, 0, 0, 4, 0, false);
        x.man(20, 0, 0, 4, 2, false);
        x.man(20, 0, 0, 4, 2, true);
        x.man(20, 0, 0, 1, 1, false);
        due("WORK", x.work(4, 0), 3);
        due("homes", x.work(4, 1), 3);
        due("pits", x.work(4, 2), 5);
        due("none", x.work(0, 0) + x.work(0, 1) + x.work(0, 2), 0);
        x.leave(1);
        due("GONE have no WORK", x.work(4, 0), 2);
        due("GONE have no home", x.work(4, 1), 2);
        x.close(0);
        due("LEFT have no WORK", x.work(4, 0), 1);
        due("LEFT have a home", x.work(4, 1), 2);
        due("pits then", x.work(4, 2), 4);
        due("no such", x.work(6, 3), PitPact.UNKNOWN);
        due("no such below", x.work(-1, 0), PitPact.UNKNOWN);
        due("what", x.work(0, 3), PitPact.OUTSIDE);
        due("what below", x.work(0, -1), PitPact.OUTSIDE);
    }

    private static void lone() {
        promise = "32 lone";
        PitPact x = withPits(2);
        x.man(20, 0, 0, 0, 0, false);
        x.man(20, 0, 0, 5, 0, false);
        x.man(20, 0, 0, 5, 0, false);
        x.man(20, 0, 0, 2, 0, false);
        x.man(20, 0, 0, 2, 1, false);
        due("towns 0 and 5", x.lone(), 33);
        x.leave(4);
        due("2 then too", x.lone(), 37);
        x.posts(1, 0, 1);
        x.close(0);
        due("the first of them alone has WORK", x.lone(), 1);
    }

    private static void told() {
        promise = "33 told";
        PitPact x = withPits(4);
        x.inflow(0, 60);
        x.inflow(1, 60);
        x.pump(1, false);
        x.months(7);
        x.way(0, 1, 1000);
        x.harm(0, 0, 0, 0);
        x.harm(0, 0, 0, 0);
        sayAll(x, "abc");
        due("PITS", x.told(0), 4);
        due("MEN", x.told(1), 0);
        due("signs", x.told(2), 3);
        due("WAYS", x.told(3), 1);
        due("HARMS", x.told(4), 2);
        due("MONTHS", x.told(5), 7);
        due("PUMPED", x.told(6), 420);
        due("SPILT", x.told(7), 120);
        due("OPEN", x.told(8), 15);
        x.wipe();
        x.man(20, 0, 0, 0, 0, true);
        x.man(20, 0, 0, 0, 0, false);
        x.man(20, 0, 0, 0, 0, false);
        for (int i = 0; i < 5; i++) {
            x.man(i < 4 ? 60 : 20, 0, 0, 0, 1, false);
        }
        x.man(20, 0, 0, 0, 2, false);
        ruleOf(x, 0, "k");
        x.close(0);
        x.leave(8);
        x.year();
        due("OPEN then", x.told(8), 14);
        int[] want = {1, 1, 4, 2, 1};
        for (int i = 0; i < want.length; i++) {
            due("told(" + (10 + i) + ")", x.told(10 + i), want[i]);
        }
        for (int what : new int[] {-1, 9, 15, 19, 27, Integer.MIN_VALUE, Integer.MAX_VALUE}) {
            due("told(" + what + ")", x.told(what), PitPact.OUTSIDE);
        }
    }

    public static void main(String[] args) {
        aNewObject();
        town();
        pit();
        about();
        man();
        ofMan();
        leave();
        posts();
        set();
        year();
        say();
        wipe();
        fault();
        rule();
        worth();
        move();
        close();
        inflow();
        pump();
        way();
        months();
        threat();
        price();
        plan();
        best();
        vote();
        worked();
        harm();
        whose();
        part();
        work();
        lone();
        told();
        System.out.println("promises: " + asked + " answers looked at, " + wrong + " wrong");
        if (wrong != 0) {
            System.exit(1);
        }
    }
}
