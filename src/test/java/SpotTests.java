/** Promises 21 to 30: towns and travellers. */
final class SpotTests {
    private SpotTests() {
    }

    static void run() {
        DateHem hem = Texts.halves("town oslo 2 11; person abcdefgh 5 359;");
        Check.part("promise 21");
        Check.due("spotCount()", hem.spotCount(), 2);
        names(hem);
        find(hem);
        Check.part("promise 24");
        Check.due("isTraveller(0)", hem.isTraveller(0), false);
        Check.due("isTraveller(1)", hem.isTraveller(1), true);
        Check.throwsIndex("isTraveller(2)", () -> hem.isTraveller(2));
        Check.throwsIndex("isTraveller(-1)", () -> hem.isTraveller(-1));
        Check.part("promise 25");
        Check.due("bandOf(0)", hem.bandOf(0), 2);
        Check.due("bandOf(1)", hem.bandOf(1), 5);
        Check.throwsIndex("bandOf(2)", () -> hem.bandOf(2));
        Check.throwsIndex("bandOf(-1)", () -> hem.bandOf(-1));
        Check.part("promise 26");
        Check.due("meridianOf(0)", hem.meridianOf(0), 11);
        Check.due("meridianOf(1)", hem.meridianOf(1), 359);
        Check.throwsIndex("meridianOf(2)", () -> hem.meridianOf(2));
        Check.throwsIndex("meridianOf(-1)", () -> hem.meridianOf(-1));
        days(hem);
        degrees();
        crossings();
        midnight();
    }

    private static void names(DateHem hem) {
        Check.part("promise 22");
        Check.due("name 0", Texts.nameOf(hem, 0), "oslo");
        Check.due("name 1", Texts.nameOf(hem, 1), "abcdefgh");
        Check.due("nameByte(0, 0)", hem.nameByte(0, 0), 111);
        Check.due("nameByte(0, 3)", hem.nameByte(0, 3), 111);
        Check.due("nameByte(0, 4)", hem.nameByte(0, 4), -1);
        Check.due("nameByte(0, -1)", hem.nameByte(0, -1), -1);
        Check.due("nameByte(1, 7)", hem.nameByte(1, 7), 104);
        Check.due("nameByte(1, 8)", hem.nameByte(1, 8), -1);
        Check.due("least", hem.nameByte(1, Integer.MIN_VALUE), -1);
        Check.due("greatest", hem.nameByte(1, Integer.MAX_VALUE), -1);
        Check.throwsIndex("nameByte(2, 0)", () -> hem.nameByte(2, 0));
        Check.throwsIndex("nameByte(-1, 0)", () -> hem.nameByte(-1, 0));
        DateHem many = Texts.halves("town z 0 0; town zz 0 0; town azazaza 0 0;");
        Check.due("a short name", Texts.nameOf(many, 0), "z");
        Check.due("a double one", Texts.nameOf(many, 1), "zz");
        Check.due("seven letters", Texts.nameOf(many, 2), "azazaza");
    }

    private static void find(DateHem hem) {
        Check.part("promise 23");
        Check.due("empty", hem.findSpot(), -1);
        Check.due("the first", Texts.type(hem, "oslo").findSpot(), 0);
        Check.due("kept", hem.findSpot(), 0);
        Check.due("length kept", Texts.inputLength(hem), 4);
        Check.due("the second", Texts.type(hem, "abcdefgh").findSpot(), 1);
        Check.due("longer", Texts.type(hem, "abcdefghi").findSpot(), -1);
        Check.due("shorter", Texts.type(hem, "abcdefg").findSpot(), -1);
        Check.due("with a blank", Texts.type(hem, "oslo ").findSpot(), -1);
        Check.due("capital", Texts.type(hem, "Oslo").findSpot(), -1);
        Check.due("with zero bytes", Texts.type(hem, "\0oslo").findSpot(), -1);
        Check.due("another", Texts.type(hem, "lima").findSpot(), -1);
        hem.truncate(0);
        Check.due("emptied", hem.findSpot(), -1);
        Check.due("none at all", Texts.type(new DateHem(), "a").findSpot(), -1);
    }

    private static void days(DateHem hem) {
        Check.part("promise 27");
        Check.due("dayOf(0)", hem.dayOf(0), 0);
        Check.due("dayOf(1)", hem.dayOf(1), -1);
        Check.throwsIndex("dayOf(2)", () -> hem.dayOf(2));
        Check.throwsIndex("dayOf(-1)", () -> hem.dayOf(-1));
        hem.pass(1);
        Check.due("after midnight", hem.dayOf(1), 0);
        hem.pass(22);
        Check.due("before a town's midnight", hem.dayOf(0), 0);
        hem.pass(1);
        Check.due("after a town's midnight", hem.dayOf(0), 1);
        DateHem town = Texts.halves("town a 4 180; town b 4 179;");
        town.moveHem(4, 181);
        Check.due("town behind a moved hem", town.dayOf(0), 0);
        town.moveHem(4, 179);
        Check.due("town before a moved hem", town.dayOf(1), -1);
    }

    private static void degrees() {
        Check.part("promise 28");
        DateHem hem = Texts.halves("town t 0 0; person p 0 100; walk p west 25;");
        Check.due("a town", hem.degreesLeft(0), 0);
        Check.due("a traveller", hem.degreesLeft(1), 25);
        Check.throwsIndex("degreesLeft(2)", () -> hem.degreesLeft(2));
        Check.throwsIndex("degreesLeft(-1)", () -> hem.degreesLeft(-1));
        hem.step(1, 0);
        Check.due("after a step", hem.degreesLeft(1), 25);
        hem.pass(1);
        Check.due("after an hour", hem.degreesLeft(1), 15);
        hem.pass(1);
        hem.pass(1);
        Check.due("after three", hem.degreesLeft(1), 0);
        Check.due("meridian", hem.meridianOf(1), 76);
    }

    private static void crossings() {
        Check.part("promise 29");
        DateHem hem = Texts.halves("town t 0 0; person p 4 179;");
        Check.due("at first", hem.crossingsOf(1), 0);
        hem.step(1, 1);
        hem.step(1, 0);
        Check.due("before the hem", hem.crossingsOf(1), 0);
        hem.rip(1);
        Check.throwsState("over a torn seam", () -> hem.step(1, 0));
        hem.sew(1, 1);
        Check.due("not crossed", hem.crossingsOf(1), 0);
        hem.step(1, 0);
        Check.due("to the east", hem.crossingsOf(1), 1);
        hem.step(1, 0);
        hem.step(1, 1);
        Check.due("beyond the hem", hem.crossingsOf(1), 1);
        hem.step(1, 1);
        Check.due("to the west", hem.crossingsOf(1), 2);
        hem.moveHem(4, 170);
        Check.due("a moved hem", hem.crossingsOf(1), 2);
        hem.walk(1, 1, 20);
        hem.pass(2);
        Check.due("walking", hem.crossingsOf(1), 3);
        Check.due("a town", hem.crossingsOf(0), 0);
        Check.throwsIndex("crossingsOf(2)", () -> hem.crossingsOf(2));
        Check.throwsIndex("crossingsOf(-1)", () -> hem.crossingsOf(-1));
        DateHem zero = Texts.halves("person p 4 359;");
        zero.step(0, 0);
        zero.step(0, 1);
        Check.due("the meridian 0", zero.crossingsOf(0), 0);
    }

    private static void midnight() {
        Check.part("promise 30");
        Check.due("no spot", new DateHem().nextMidnight(), -1);
        Check.due("one at 0", Texts.halves("town a 0 0;").nextMidnight(), 0);
        Check.due("one at 0 comes last", Texts.halves("town a 0 0; town b 0 15;").nextMidnight(), 1);
        Check.due("later hour", Texts.halves("town a 0 15; town b 0 30; town c 0 345;"
                + " town d 0 0;").nextMidnight(), 2);
        Check.due("the smallest of several",
                Texts.halves("town a 0 10; person b 0 350; town c 1 345;").nextMidnight(), 1);
        DateHem hem = Texts.halves("town a 0 0; town b 0 100;");
        Check.due("before", hem.nextMidnight(), 1);
        hem.pass(18);
        Check.due("as the clock goes on", hem.nextMidnight(), 0);
        hem.pass(6);
        Check.due("a day later", hem.nextMidnight(), 1);
    }
}
