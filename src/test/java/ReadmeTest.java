/** The calls that README.md tells, with their answers. */
public final class ReadmeTest {
    private static final Check CHECK = new Check("ReadmeTest");

    public static void main(String[] args) {
        PeatBog bog = new PeatBog();
        bog.feed(0x67616e67, 0x20616e6e, 0x20617420, 0x3120307b, 0x63757420);
        bog.feed(0x363b7475, 0x726e3b77, 0x61697420, 0x31383b6c, 0x6f616420);
        CHECK.same("feed", bog.feed(0x363b676f, 0x20302c30, 0x3b756e6c, 0x6f61643b, 0x7d000000), 60);
        CHECK.same("trim", bog.trim(57), 57);
        CHECK.same("teach", bog.teach(), 0);
        CHECK.same("errorAt", bog.errorAt(), -1);
        CHECK.same("dry bricks foreseen", bog.foresee(30, 0), 0);
        CHECK.same("wet bricks foreseen", bog.foresee(30, 1), 6);
        CHECK.same("advise", bog.advise(30), 0);
        CHECK.same("setWeather", bog.setWeather(0, 0, 9), 4);
        CHECK.same("done", bog.done(0), 24);
        CHECK.same("the day 0", bog.pass(10), 0);
        CHECK.same("cell", bog.cell(1, 0, 3), 2);
        CHECK.same("two more days", bog.pass(20), 6);
        CHECK.same("share is 1.0", bog.share() == 1.0 ? 1 : 0, 1);
        CHECK.same("draw", bog.draw(), 72);
        CHECK.same("the gang in the barn's cell", bog.byteAt(0), 'G');
        CHECK.same("the last line end", bog.byteAt(71), 10);
        CHECK.finish();
    }
}
