/** Words of the document, and how many of the answers that are due by them were asked and wrong. */
final class Sentence {
    final String words;
    int asked;
    int wrong;

    Sentence(String words) {
        this.words = words;
    }
}
