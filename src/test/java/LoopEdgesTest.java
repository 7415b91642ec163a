/**
 * The control loop's boundaries: SUM "not less than -2000 and not more than 2000", the command "rounded down, but
 * not less than -500 and not more than 500", and the ends of target, value, P and I.
 */
public final class LoopEdgesTest {
    private static final Check CHECK = new Check();

    public static void main(String[] args) {
        for (int sign = -1; sign <= 1; sign += 2) {
            sumJustInside(sign);
            sumJustOutside(sign);
            sumFarOutside(sign);
            sumIsHeldBeforeItIsUsed(sign);
            sumTurnsBackFromItsEnd(sign);
        }
        commandsAreRoundedDown();
        commandsOfBothPartsAreRoundedOnce();
        commandsHaveEnds();
        theEndsOfAllInputs();
        sumStaysOverControl();
        eachSourceHasItsSum();
        CHECK.end("LoopEdgesTest");
    }

    /** One sample of node 1 with a difference e to its target, P and I; the command that it gets. */
    private static int step(SlottedMesh mesh, int e, int p, int i) {
        int target = e / 2;
        CHECK.due("control", mesh.control(1, target, p, i), true);
        mesh.sample(1, target - e);
        mesh.run(8);
        return mesh.actuator(1);
    }

    private static int first(int e, int p, int i) {
        return step(Meshes.two(), e, p, i);
    }

    /** Brings SUM from an end to -100 .. 100 and shows it. */
    private static int shown(SlottedMesh mesh, int sign) {
        return sign * 1900 + step(mesh, -sign * 1900, 0, 16);
    }

    private static void sumJustInside(int sign) {
        for (int sum = 1998; sum <= 2000; sum++) {
            SlottedMesh mesh = Meshes.two();
            step(mesh, sign * 1000, 0, 0);
            step(mesh, sign * (sum - 1000), 0, 0);
            CHECK.due("SUM " + sign * sum, shown(mesh, sign), sign * sum);
        }
        SlottedMesh mesh = Meshes.two();
        step(mesh, sign * 2000, 0, 0);
        CHECK.due("SUM 2000 in one step", shown(mesh, sign), sign * 2000);
    }

    private static void sumJustOutside(int sign) {
        for (int sum = 2001; sum <= 2003; sum++) {
            SlottedMesh mesh = Meshes.two();
            step(mesh, sign * 1000, 0, 0);
            step(mesh, sign * (sum - 1000), 0, 0);
            CHECK.due("SUM instead of " + sign * sum, shown(mesh, sign), sign * 2000);
        }
    }

    private static void sumFarOutside(int sign) {
        SlottedMesh mesh = Meshes.two();
        for (int k = 0; k < 20; k++) {
            step(mesh, sign * 2000, 0, 0);
        }
        CHECK.due("SUM instead of 40000", shown(mesh, sign), sign * 2000);
    }

    private static void sumIsHeldBeforeItIsUsed(int sign) {
        SlottedMesh mesh = Meshes.two();
        CHECK.due("SUM 2000 used", step(mesh, sign * 2000, 0, 1), sign * 125);
        CHECK.due("and not 4000", step(mesh, sign * 2000, 0, 1), sign * 125);
        CHECK.due("nor 2160", step(mesh, sign * 160, 0, 1), sign * 125);
        CHECK.due("P is for e alone", step(mesh, sign * 160, 1, 1), sign * 135);
    }

    private static void sumTurnsBackFromItsEnd(int sign) {
        SlottedMesh mesh = Meshes.two();
        step(mesh, sign * 2000, 0, 0);
        step(mesh, sign * 1500, 0, 0);
        CHECK.due("SUM 1600", step(mesh, -sign * 400, 0, 1), sign * 100);
        CHECK.due("SUM 0", step(mesh, -sign * 1600, 0, 1), 0);
        CHECK.due("SUM -2000", step(mesh, -sign * 2000, 0, 1), -sign * 125);
        CHECK.due("SUM -2000 yet", step(mesh, -sign * 16, 0, 1), -sign * 125);
        CHECK.due("SUM -1984", step(mesh, sign * 16, 0, 1), -sign * 124);
    }

    private static void commandsAreRoundedDown() {
        int[][] rows = {{0, 0}, {1, 0}, {15, 0}, {16, 1}, {17, 1}, {31, 1}, {32, 2}, {33, 2},
            {-1, -1}, {-15, -1}, {-16, -1}, {-17, -2}, {-31, -2}, {-32, -2}, {-33, -3}, {2000, 125}, {1999, 124},
            {-1999, -125}, {-2000, -125}, {-1984, -124}, {-1985, -125}};
        for (int[] row : rows) {
            CHECK.due(row[0] + " / 16 by P", first(row[0], 1, 0), row[1]);
            CHECK.due(row[0] + " / 16 by I", first(row[0], 0, 1), row[1]);
        }
    }

    private static void commandsOfBothPartsAreRoundedOnce() {
        CHECK.due("(8 + 8) / 16", first(8, 1, 1), 1);
        CHECK.due("(-8 - 8) / 16", first(-8, 1, 1), -1);
        CHECK.due("(-9 - 9) / 16", first(-9, 1, 1), -2);
        CHECK.due("(15 + 15) / 16", first(15, 1, 1), 1);
        SlottedMesh mesh = Meshes.two();
        step(mesh, 40, 0, 0);
        CHECK.due("(-30 * 1 + 10 * 1) / 16", step(mesh, -30, 1, 1), -2);
        CHECK.due("(10 * 1 + 20 * 1) / 16", step(mesh, 10, 1, 1), 1);
        CHECK.due("(-24 * 2 + -4 * 3) / 16", step(mesh, -24, 2, 3), -4);
    }

    private static void commandsHaveEnds() {
        for (int e = 498; e <= 503; e++) {
            CHECK.due("16 * " + e + " / 16", first(e, 16, 0), Math.min(500, e));
            CHECK.due("-16 * " + e + " / 16", first(-e, 16, 0), -Math.min(500, e));
            CHECK.due("16 * " + e + " / 16 by I", first(e, 0, 16), Math.min(500, e));
            CHECK.due("-16 * " + e + " / 16 by I", first(-e, 0, 16), -Math.min(500, e));
        }
        CHECK.due("7995 / 16 is 499 and a part", first(1599, 5, 0), 499);
        CHECK.due("8015 / 16 is 500 and a part", first(1603, 5, 0), 500);
        CHECK.due("8020 / 16 is 501 and a part", first(1604, 5, 0), 500);
        CHECK.due("-7984 / 16 is -499", first(-499, 16, 0), -499);
        CHECK.due("-7985 / 16 is -499 and a part", first(-1597, 5, 0), -500);
        CHECK.due("-8001 / 16 is -500 and a part", first(-889, 9, 0), -500);
        CHECK.due("both ends at once", first(250, 16, 16), 500);
        CHECK.due("both ends at once", first(-250, 16, 16), -500);
        CHECK.due("just below", first(249, 16, 16), 498);
        CHECK.due("just above", first(-249, 16, 16), -498);
    }

    private static void theEndsOfAllInputs() {
        for (int target : new int[] {-1000, 0, 1000}) {
            for (int value : new int[] {-1000, -999, 0, 999, 1000}) {
                for (int p : new int[] {0, 1, 15, 16}) {
                    for (int i : new int[] {0, 1, 15, 16}) {
                        ends(target, value, p, i);
                    }
                }
            }
        }
    }

    private static void ends(int target, int value, int p, int i) {
        SlottedMesh mesh = Meshes.two();
        CHECK.due("accepted", mesh.control(1, target, p, i), true);
        CHECK.due("accepted", mesh.sample(1, value), 1);
        mesh.run(8);
        int e = target - value;
        int due = (int) Math.max(-500, Math.min(500, Math.floor((p + i) * e / 16.0)));
        CHECK.due("target " + target + ", value " + value + ", P " + p + ", I " + i, mesh.actuator(1), due);
    }

    private static void sumStaysOverControl() {
        SlottedMesh mesh = Meshes.two();
        step(mesh, 100, 0, 0);
        for (int k = 0; k < 3; k++) {
            mesh.control(1, -1000 + 1000 * k, 16, 16);
        }
        CHECK.due("SUM is 101", step(mesh, 1, 0, 16), 101);
        mesh.control(1, 1001, 16, 16);
        CHECK.due("SUM is 102", step(mesh, 1, 0, 16), 102);
    }

    private static void eachSourceHasItsSum() {
        SlottedMesh mesh = Meshes.chain();
        mesh.control(1, 1000, 0, 1);
        mesh.control(2, -1000, 0, 1);
        for (int k = 0; k < 4; k++) {
            mesh.sample(1, 0);
            mesh.sample(2, 0);
            mesh.run(40);
            CHECK.due("SUM of 1", mesh.actuator(1), k == 0 ? 62 : 125);
            CHECK.due("SUM of 2", mesh.actuator(2), k == 0 ? -63 : -125);
        }
    }
}
