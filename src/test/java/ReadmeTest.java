import java.io.IOException;
import java.nio.file.Files;
import java.nio.file.Path;

/** The example of README.md: each of its calls is there as it stands here, and answers what it says. */
final class ReadmeTest {
    private static String readme;

    public static void main(String[] args) throws IOException {
        readme = Files.readString(Path.of("README.md"));
        TextAtlas atlas = new TextAtlas();
        shown("atlas.feed(0x30304335, 0x3B4C753B, 0x303B3030, 0x34312030, 0x3330413B);",
            atlas.feed(0x30304335, 0x3B4C753B, 0x303B3030, 0x34312030, 0x3330413B), 20);
        shown("atlas.feed(0x3B3B2020, 0x20202020, 0x20202020, 0x20202020, 0x20202020);",
            atlas.feed(0x3B3B2020, 0x20202020, 0x20202020, 0x20202020, 0x20202020), 40);
        shown("atlas.line(0);                 // 1:", atlas.line(0), 1);
        shown("atlas.seal();                  // 1:", atlas.seal(), 1);
        shown("atlas.add(0, 0x00C5);", atlas.add(0, 0x00C5), 1);
        shown("atlas.normal(1, 0, 0);         // 2:", atlas.normal(1, 0, 0), 2);
        shown("atlas.point(1, 0);             // 0x0041", atlas.point(1, 0), 0x0041);
        shown("atlas.key(1, 3, false);", atlas.key(1, 3, false), 20);
        shown("atlas.word(0);", atlas.word(0), 0xFBC08041FBC0830AL);
        Bench.finish();
    }

    private static void shown(String code, long got, long want) {
        Bench.due("README.md has " + code, readme.contains(code), true);
        Bench.due(code, got, want);
    }
}
