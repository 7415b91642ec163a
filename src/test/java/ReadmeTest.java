/** The calls that README.md shows, with the answers that it tells. */
public final class ReadmeTest {
    private static final Check CHECK = new Check();

    public static void main(String[] args) {
        SlottedMesh mesh = new SlottedMesh(3, 10, 1);
        CHECK.due("pair(0, 1, true)", mesh.pair(0, 1, true), true);
        CHECK.due("pair(1, 2, true)", mesh.pair(1, 2, true), true);
        CHECK.due("plan()", mesh.plan(), 7);
        CHECK.due("start(1)", mesh.start(1), true);
        CHECK.due("start(2)", mesh.start(2), true);
        CHECK.due("run(10)", mesh.run(10), 10);
        CHECK.due("1 has joined", mesh.current(1), true);
        CHECK.due("2 has joined", mesh.current(2), true);
        CHECK.due("control(2, 100, 8, 4)", mesh.control(2, 100, 8, 4), true);
        CHECK.due("sample(2, 40)", mesh.sample(2, 40), 1);
        CHECK.due("run(20)", mesh.run(20), 30);
        CHECK.due("cached(2, 0)", mesh.cached(2, 0), 40);
        CHECK.due("actuator(2)", mesh.actuator(2), 45);
        CHECK.end("ReadmeTest");
    }
}
